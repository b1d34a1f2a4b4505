/** The example of README.md, call by call: it answers what the README says. */
final class ReadmeTest {
    private ReadmeTest() {
    }

    public static void main(String[] args) {
        PacketForge forge = new PacketForge();
        String text = "n:8;n*(v:16<);#x";
        for (int i = 0; i < text.length(); i++) {
            Checks.yes("type", forge.type(text.charAt(i), 1));
        }
        Checks.same("compile", forge.compile(), 0);
        forge.add(2);
        forge.add(513);
        forge.add(7);
        Checks.same("write", forge.write(), 0);
        Checks.packetIs("written", forge, 0x02, 0x01, 0x02, 0x07, 0x00, 0x06);
        forge.flip(47);
        Checks.same("read with a wrong check", forge.read(), 4040);
        forge.flip(47);
        Checks.same("read", forge.read(), 0);
        Checks.recordIs("read", forge, 2, 513, 7);
        Checks.namesAre("read", forge, "nvv");
        Checks.end();
    }
}
