public final class Parade {
    public static void main(String[] args) {
        OathButtons x = new OathButtons();
        tell(x, "man tom; man ned; deed march hours 6; deed sing hours 4;"
            + "button a on tom by ned does march until 1;"
            + "button b on tom by ned never sing thread 3;"
            + "friend tom ned 4; wear 1 + storm * 2; storm 50; draw 9;");
        System.out.println("buttons: " + x.regiment());
        System.out.println("oaths that tom can keep: " + x.keep(0, 0) + ", by deed " + x.lies(0));
        System.out.println("to be undone before he sings: " + x.leave(0, 1) + ", button " + x.lies(0));
        System.out.println("odds that b holds two days: " + x.odds(1, 2, 0) + " of " + x.odds(1, 2, 1));
        System.out.println("tom marches, kept and broken: " + x.does(0, 0));
        System.out.println("a day goes by, buttons lost: " + x.day());
        System.out.println("taken back: " + x.undo() + ", it is day " + x.about(4));
        System.out.println("no such man: " + x.coat(7, 0));

        tell(x, "man tom; man tom;");
        if (x.regiment() == OathButtons.NONE) {
            System.out.println("fault " + x.fault(0) + " at byte " + x.fault(1));
        }
    }

    /** Puts a text on the empty tape. */
    private static void tell(OathButtons x, String text) {
        for (int from = 0; from < text.length(); from += 20) {
            int[] five = new int[5];
            for (int i = 0; i < 20; i++) {
                int sign = from + i < text.length() ? text.charAt(from + i) : ' ';
                five[i / 4] = five[i / 4] << 8 | sign;
            }
            x.feed(five[0], five[1], five[2], five[3], five[4]);
        }
        x.end(text.length());
    }
}
