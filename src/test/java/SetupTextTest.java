/** Section 7 and promise 4: where a setup text goes wrong. */
public final class SetupTextTest {
    public static void main(String[] args) {
        grammar();
        spaces();
        numbers();
        quires();
        missing();
        slips();
        labels();
        Checks.end();
    }

    private static void grammar() {
        Checks.reads("^");
        Checks.reads("quire^");
        Checks.reads("quire 4");
        Checks.reads("quire 4;^");
        Checks.reads("quire 4;^;quire 4");
        Checks.reads("^;quire 4");
        Checks.reads("^missing 0");
        Checks.reads("^slip 0 recto 1");
        Checks.reads("^label 0 0 page 1");
        Checks.reads("^quires 4");
        Checks.reads("^quir 4");
        Checks.reads("^wuire 4");
        Checks.reads("^quirez 4");
        Checks.reads("^aquire 4");
        Checks.reads("quire^`4");
        Checks.reads("quire^{4");
        Checks.reads("quire^/4");
        Checks.reads("quire^:4");
        Checks.reads("^Quire 4");
        Checks.reads("^4");
        Checks.reads("quire 4 ^4");
        Checks.reads("quire 4^,quire 2");
        Checks.reads("quire 4^quire 2");
        Checks.reads("quire 4;quire 2");
        Checks.reads("quire 4;^leaf 2");
        Checks.reads("quire 4;^2");
        Checks.reads("quire 4;^recto");
        Checks.reads("quire ^-4");
        Checks.reads("quire ^four");
        Checks.reads("quire ^;quire 4");
        Checks.reads("quire 4;missing^");
        Checks.reads("quire 4;missing 1^.");
        Checks.reads("quire 4;slip^");
        Checks.reads("quire 4;slip 0^");
        Checks.reads("quire 4;slip 0 recto^");
        Checks.reads("quire 4;label^");
        Checks.reads("quire 4;label 0^");
        Checks.reads("quire 4;label 0 1^");
        Checks.reads("quire 4;label 0 1 page^");
        Checks.reads("quire 4;label 0 1 page 1");
        Checks.reads("quire 4^" + (char) 200);
        Checks.reads("quire 4^" + (char) 9);
        Checks.reads("quire 4;missing 0;quire 2;slip 1 recto 1;label 0 5 none 1;quire 2;missing 7");
    }

    private static void spaces() {
        Checks.reads("   ^");
        Checks.reads("  quire  4  ");
        Checks.reads("  quire  4  ;  ^");
        Checks.reads("quire   ^");
        Checks.reads("quire4");
        Checks.reads("quire4;missing0 1;slip2recto1;label0 0page1");
        Checks.reads(" quire 4 ; missing 0 1 ; slip 2 recto 1 ; label 0 0 page 1 ");
        Checks.reads("quire4;slip0^rectox1");
        Checks.reads("^qu ire 4");
        Checks.reads("quire 4;missing 1 1 ^1");
    }

    private static void numbers() {
        Checks.reads("quire 04");
        Checks.reads("quire 0004");
        Checks.reads("quire ^00004");
        Checks.reads("quire ^99999999999");
        Checks.reads("quire 4;missing 0000 0003");
        Checks.reads("quire 4;missing ^00000");
        Checks.reads("quire 4;missing 0 ^00003");
        Checks.reads("quire 4;slip 0 recto ^00001");
        Checks.reads("quire 4;label 0 0 page ^00001");
    }

    private static void quires() {
        Checks.reads("quire ^0");
        Checks.reads("quire 2");
        Checks.reads("quire ^3");
        Checks.reads("quire 12");
        Checks.reads("quire ^13");
        Checks.reads("quire ^14");
        Checks.reads("quire 2;quire 2;quire 2;quire 2;quire 2;quire 2;quire 2;quire 2");
        Checks.reads("quire 2;quire 2;quire 2;quire 2;quire 2;quire 2;quire 2;quire 2;^quire 2");
        Checks.reads("quire 12;quire 12;quire 12;quire 12;quire 10;quire 2");
        Checks.reads("quire 12;quire 12;quire 12;quire 12;quire 10;quire ^4");
        Checks.reads("quire 12;quire 12;quire 12;quire 12;quire 10;quire 2;quire ^2");
    }

    private static void missing() {
        Checks.reads("quire 4;missing 3");
        Checks.reads("quire 4;missing ^4");
        Checks.reads("quire 4;missing ^recto");
        Checks.reads("quire 4;missing 3;missing 3");
        Checks.reads("quire 4;missing 0 3;missing 1 2");
        Checks.reads("quire 4;missing 2 2");
        Checks.reads("quire 4;missing 2 ^1");
        Checks.reads("quire 4;missing 2 ^4");
        Checks.reads("quire 4;missing 2 ^to");
        Checks.reads("quire 4;missing ^4;quire 2");
        Checks.reads("quire 4;quire 2;missing 4 5");
        Checks.reads("quire 4;slip 1 recto 1;missing ^1");
        Checks.reads("quire 4;slip 1 recto 1;missing ^1 2");
        Checks.reads("quire 4;slip 1 verso 1;missing 0 ^1");
        Checks.reads("quire 4;slip 1 recto 1;missing 0 ^3");
        Checks.reads("quire 4;slip 1 recto 1;missing 2 3;missing 0 0");
        Checks.reads("quire 2;slip 0 recto 1;slip 1 recto 1;missing ^0");
    }

    private static void slips() {
        Checks.reads("quire 4;slip 3 verso 2");
        Checks.reads("quire 4;slip ^4 verso 2");
        Checks.reads("quire 4;missing 0 2;slip ^2 verso 2");
        Checks.reads("quire 4;missing 0 2;slip 3 verso 2");
        Checks.reads("quire 2;missing 0 1;slip ^0 recto 1");
        Checks.reads("quire 4;slip 0 ^0 2");
        Checks.reads("quire 4;slip 0 ^front 2");
        Checks.reads("quire 4;slip 0 recto ^0");
        Checks.reads("quire 4;slip 0 recto ^3");
        Checks.reads("quire 4;slip 0 recto 1 ^1");
        String twelve = "quire 2" + ";slip 0 recto 1".repeat(12);
        Checks.reads(twelve);
        Checks.reads(twelve + ";^slip 0 recto 1");
        Checks.reads(twelve + ";missing 1;quire 2;label 0 0 page 1");
    }

    private static void labels() {
        Checks.reads("quire 4;label 0 3 folio 1");
        Checks.reads("quire 4;label 3 3 roman 999");
        Checks.reads("quire 4;label 0 0 none 1");
        Checks.reads("quire 4;label ^4 4 page 1");
        Checks.reads("quire 4;label 0 ^4 page 1");
        Checks.reads("quire 4;label 2 ^1 page 1");
        Checks.reads("quire 4;label 0 1 ^pages 1");
        Checks.reads("quire 4;label 0 1 ^1");
        Checks.reads("quire 4;label 0 1 page ^0");
        Checks.reads("quire 4;label 0 1 page ^1000");
        Checks.reads("quire 4;label 0 1 page ^one");
        Checks.reads("quire 4;missing 0 3;label 0 3 page 1");
        String twelve = "quire 2" + ";label 0 1 page 1".repeat(12);
        Checks.reads(twelve);
        Checks.reads(twelve + ";^label 0 1 page 1");
        Checks.reads(twelve + ";slip 0 recto 1");
    }
}
