/** Section 7 and promise 4: where a setup text goes wrong. */
public final class SetupTextTest {
    private static final PageArchive ARCHIVE = new PageArchive();

    public static void main(String[] args) {
        grammar();
        spaces();
        numbers();
        quires();
        missing();
        slips();
        labels();
        Checks.end();
    }

    /** The text is valid up to the sign ^, which is taken out; without one it is valid as a whole. */
    private static void reads(String marked) {
        int due = marked.indexOf('^');
        String text = due < 0 ? marked : marked.substring(0, due) + marked.substring(due + 1);
        ARCHIVE.truncate(0);
        Checks.type(ARCHIVE, text);
        Checks.is("errorPosition of \"" + text + "\"", due, ARCHIVE.errorPosition());
        Checks.is("the length is kept", text.length(), ARCHIVE.append(0, 0, 0, 0, 0));
    }

    private static void grammar() {
        reads("^");
        reads("quire^");
        reads("quire 4");
        reads("quire 4;^");
        reads("quire 4;^;quire 4");
        reads("^;quire 4");
        reads("^missing 0");
        reads("^slip 0 recto 1");
        reads("^label 0 0 page 1");
        reads("^quires 4");
        reads("^quir 4");
        reads("^wuire 4");
        reads("^quirez 4");
        reads("^aquire 4");
        reads("quire^`4");
        reads("quire^{4");
        reads("quire^/4");
        reads("quire^:4");
        reads("^Quire 4");
        reads("^4");
        reads("quire 4 ^4");
        reads("quire 4^,quire 2");
        reads("quire 4^quire 2");
        reads("quire 4;quire 2");
        reads("quire 4;^leaf 2");
        reads("quire 4;^2");
        reads("quire 4;^recto");
        reads("quire ^-4");
        reads("quire ^four");
        reads("quire ^;quire 4");
        reads("quire 4;missing^");
        reads("quire 4;missing 1^.");
        reads("quire 4;slip^");
        reads("quire 4;slip 0^");
        reads("quire 4;slip 0 recto^");
        reads("quire 4;label^");
        reads("quire 4;label 0^");
        reads("quire 4;label 0 1^");
        reads("quire 4;label 0 1 page^");
        reads("quire 4;label 0 1 page 1");
        reads("quire 4^" + (char) 200);
        reads("quire 4^" + (char) 9);
        reads("quire 4;missing 0;quire 2;slip 1 recto 1;label 0 5 none 1;quire 2;missing 7");
    }

    private static void spaces() {
        reads("   ^");
        reads("  quire  4  ");
        reads("  quire  4  ;  ^");
        reads("quire   ^");
        reads("quire4");
        reads("quire4;missing0 1;slip2recto1;label0 0page1");
        reads(" quire 4 ; missing 0 1 ; slip 2 recto 1 ; label 0 0 page 1 ");
        reads("quire4;slip0^rectox1");
        reads("^qu ire 4");
        reads("quire 4;missing 1 1 ^1");
    }

    private static void numbers() {
        reads("quire 04");
        reads("quire 0004");
        reads("quire ^00004");
        reads("quire ^99999999999");
        reads("quire 4;missing 0000 0003");
        reads("quire 4;missing ^00000");
        reads("quire 4;missing 0 ^00003");
        reads("quire 4;slip 0 recto ^00001");
        reads("quire 4;label 0 0 page ^00001");
    }

    private static void quires() {
        reads("quire ^0");
        reads("quire 2");
        reads("quire ^3");
        reads("quire 12");
        reads("quire ^13");
        reads("quire ^14");
        reads("quire 2;quire 2;quire 2;quire 2;quire 2;quire 2;quire 2;quire 2");
        reads("quire 2;quire 2;quire 2;quire 2;quire 2;quire 2;quire 2;quire 2;^quire 2");
        reads("quire 12;quire 12;quire 12;quire 12;quire 10;quire 2");
        reads("quire 12;quire 12;quire 12;quire 12;quire 10;quire ^4");
        reads("quire 12;quire 12;quire 12;quire 12;quire 10;quire 2;quire ^2");
    }

    private static void missing() {
        reads("quire 4;missing 3");
        reads("quire 4;missing ^4");
        reads("quire 4;missing ^recto");
        reads("quire 4;missing 3;missing 3");
        reads("quire 4;missing 0 3;missing 1 2");
        reads("quire 4;missing 2 2");
        reads("quire 4;missing 2 ^1");
        reads("quire 4;missing 2 ^4");
        reads("quire 4;missing 2 ^to");
        reads("quire 4;missing ^4;quire 2");
        reads("quire 4;quire 2;missing 4 5");
        reads("quire 4;slip 1 recto 1;missing ^1");
        reads("quire 4;slip 1 recto 1;missing ^1 2");
        reads("quire 4;slip 1 verso 1;missing 0 ^1");
        reads("quire 4;slip 1 recto 1;missing 0 ^3");
        reads("quire 4;slip 1 recto 1;missing 2 3;missing 0 0");
        reads("quire 2;slip 0 recto 1;slip 1 recto 1;missing ^0");
    }

    private static void slips() {
        reads("quire 4;slip 3 verso 2");
        reads("quire 4;slip ^4 verso 2");
        reads("quire 4;missing 0 2;slip ^2 verso 2");
        reads("quire 4;missing 0 2;slip 3 verso 2");
        reads("quire 2;missing 0 1;slip ^0 recto 1");
        reads("quire 4;slip 0 ^0 2");
        reads("quire 4;slip 0 ^front 2");
        reads("quire 4;slip 0 recto ^0");
        reads("quire 4;slip 0 recto ^3");
        reads("quire 4;slip 0 recto 1 ^1");
        String twelve = "quire 2" + ";slip 0 recto 1".repeat(12);
        reads(twelve);
        reads(twelve + ";^slip 0 recto 1");
        reads(twelve + ";missing 1;quire 2;label 0 0 page 1");
    }

    private static void labels() {
        reads("quire 4;label 0 3 folio 1");
        reads("quire 4;label 3 3 roman 999");
        reads("quire 4;label 0 0 none 1");
        reads("quire 4;label ^4 4 page 1");
        reads("quire 4;label 0 ^4 page 1");
        reads("quire 4;label 2 ^1 page 1");
        reads("quire 4;label 0 1 ^pages 1");
        reads("quire 4;label 0 1 ^1");
        reads("quire 4;label 0 1 page ^0");
        reads("quire 4;label 0 1 page ^1000");
        reads("quire 4;label 0 1 page ^one");
        reads("quire 4;missing 0 3;label 0 3 page 1");
        String twelve = "quire 2" + ";label 0 1 page 1".repeat(12);
        reads(twelve);
        reads(twelve + ";^label 0 1 page 1");
        reads(twelve + ";slip 0 recto 1");
    }
}
