/** Texts with the wrong token marked by ^, and the kind of its fault; promises 3 and 4. */
public final class FaultsTest {
    private static final Due DUE = new Due("FaultsTest");
    private static final String START = "rooms 3 ; door dd 0 to 1 plain ; person pp child at 0 errand 0 by 9 ; ";

    public static void main(String[] args) {
        tokens();
        roomsLine();
        doorLine();
        personLine();
        names();
        letLine();
        nesting();
        dayLines();
        tooMany();
        DUE.end();
    }

    private static int wanted(String marked, int kind) {
        return kind == 0 ? 0 : kind + 16 * marked.indexOf('^');
    }

    private static void quarter(String marked, int kind) {
        OneSided x = new OneSided();
        DUE.same("quarter of " + marked, Due.quarter(x, marked.replace("^", "")), wanted(marked, kind));
        DUE.same("the tape is taken", x.count(9), 0);
    }

    private static void line(String marked, int kind) {
        quarter(START + marked, kind);
    }

    private static void day(String marked, int kind) {
        OneSided x = DUE.made(START);
        DUE.same("day of " + marked, Due.day(x, marked.replace("^", "")), wanted(marked, kind));
        DUE.same("the tape is taken", x.count(9), 0);
    }

    private static void tokens() {
        quarter("rooms3;", 0);
        quarter("\nrooms\n0003\n;\n", 0);
        quarter("rooms ^00003 ;", 1);
        quarter("rooms 3;door abcdefgh 0to 1plain;", 0);
        quarter("rooms 3;door ^abcdefghi 0to 1plain;", 1);
        quarter("rooms 3;door a1 to 2plain;", 0);
        quarter("rooms 3;door ^A 1 to 2plain;", 1);
        quarter("rooms 3;door a^? 1 to 2plain;", 1);
        quarter("^Rooms 3 ;", 1);
        quarter("rooms 3 ; ^> A", 1);
    }

    private static void roomsLine() {
        quarter("^", 1);
        quarter("  \n ^", 1);
        quarter("^room 3 ;", 1);
        quarter("^let 1 ;", 1);
        quarter("rooms^", 1);
        quarter("rooms ^x", 1);
        quarter("rooms ^1 ;", 4);
        quarter("rooms ^11 ;", 4);
        quarter("rooms ^0 ;", 4);
        quarter("rooms 10 ;", 0);
        quarter("rooms 2 ;", 0);
        quarter("rooms 2^", 1);
        quarter("rooms 2 ; ^rooms 2 ;", 1);
        quarter("rooms 2 ; ^;", 1);
    }

    private static void doorLine() {
        line("door ee 1 to 2 hinge open 0 to 24 for cat holds 9 price 9 ;", 0);
        line("door ee 1 to 2 blank price 0 ;", 0);
        line("door ee 1 to 2 turning holds 1 price 0 ;", 0);
        line("door ^3", 1);
        line("door ee ^x", 1);
        line("door ee ^3 to 1", 4);
        line("door ee 2 ^2", 1);
        line("door ee 2 to ^2", 3);
        line("door ee 2 to ^3", 4);
        line("door ee 2 to ^plain", 1);
        line("door ee 2 to 1 ^tenant", 1);
        line("door ee 2 to 1 ^;", 1);
        line("door ee 2 to 1 plain ^by", 1);
        line("door ee 2 to 1 plain open ^24", 4);
        line("door ee 2 to 1 plain open 23 to 24 ;", 0);
        line("door ee 2 to 1 plain open 23 to ^23", 4);
        line("door ee 2 to 1 plain open 0 to ^25", 4);
        line("door ee 2 to 1 plain open 0 to ^0", 4);
        line("door ee 2 to 1 plain open 0 ^for", 1);
        line("door ee 2 to 1 plain for ^plain", 1);
        line("door ee 2 to 1 plain for cat ^open 1 to 2", 1);
        line("door ee 2 to 1 plain holds ^0", 4);
        line("door ee 2 to 1 plain holds ^10", 4);
        line("door ee 2 to 1 plain holds 2 ^holds", 1);
        line("door ee 2 to 1 plain price ^10", 4);
        line("door ee 2 to 1 plain price 1 ^holds 1", 1);
        line("door ee 2 to 1 plain ^", 1);
    }

    private static void personLine() {
        line("person qq soldier at 2 errand 1 by 24 ;", 0);
        line("person qq ^plain", 1);
        line("person qq cat ^errand", 1);
        line("person qq cat at ^3", 4);
        line("person qq cat at 2 ^by", 1);
        line("person qq cat at 2 errand ^3", 4);
        line("person qq cat at 2 errand 2 by ^0", 4);
        line("person qq cat at 2 errand 2 by ^25", 4);
        line("person qq cat at 2 errand 2 by 1 ^1", 1);
    }

    private static void names() {
        line("door ^dd", 3);
        line("door ^pp", 3);
        line("person ^dd", 3);
        line("person ^pp", 3);
        String reserved = "rooms door to open for holds price person at errand by let go hour plain turning "
            + "hinge blank tenant soldier child cat not and or";
        for (String word : reserved.split(" ")) {
            line("door ^" + word, 1);
            line("person ^" + word, 1);
        }
        for (String word : "time sort cost room hours lets catt".split(" ")) {
            line("door " + word + " 0 to 1 plain ;", 0);
        }
    }

    private static void letLine() {
        line("let 1 ;", 0);
        line("let 1 + 2 * 3 - 4 < 5 and 6 = 7 or not ( time * sort + cost - room ) ;", 0);
        line("let 1 ; ^let 1 ;", 3);
        line("let ^;", 1);
        line("let ^hours", 1);
        line("let ^plain", 1);
        line("let ^dd", 1);
        line("let ^and", 1);
        line("let ^)", 1);
        line("let ^-1 ;", 1);
        line("let 1 ^2", 1);
        line("let 1 < 2 ^< 3", 1);
        line("let 1 = 2 ^< 3", 1);
        line("let 1 < 2 and 2 < 3 ;", 0);
        line("let ( 1 < 2 ) = 3 ;", 0);
        line("let ( 1 ^;", 1);
        line("let ( 1 ) ^)", 1);
        line("let ( ^)", 1);
        line("let 1 + ^;", 1);
        line("let 1 * ^* 2", 1);
        line("let not ^+ 1", 1);
        line("let 1 ^not 2", 1);
        line("let ^12345 ;", 1);
    }

    private static void nesting() {
        line("let not not not not 1 ;", 0);
        line("let not not not not not ^1", 5);
        line("let not not not not not ^not", 5);
        line("let not not not not not ^(", 5);
        line("let not not not not not ^time", 5);
        line("let not not not not not ^and", 1);
        line("let not not not not not ^;", 1);
        line("let not not not not not ^", 1);
        line("let ( ( ( ( 1 ) ) ) ) ;", 0);
        line("let ( ( ( ( ( ^1", 5);
        line("let ( not ( not 1 ) ) + ( not ( not 1 ) ) ;", 0);
        line("let ( not ( not ( ^1", 5);
        line("let ( ( ( ( 1 + 1 * ( ^1", 5);
    }

    private static void dayLines() {
        day("^", 0);
        day("go pp dd ; hour ;", 0);
        day("hour;go pp dd;", 0);
        day("go ^dd", 2);
        day("go ^xx", 2);
        day("go ^go", 1);
        day("go ^1", 1);
        day("go pp ^pp", 2);
        day("go pp ^ee", 2);
        day("go pp ^hour", 1);
        day("go pp dd ^", 1);
        day("go pp dd ^dd", 1);
        day("hour ^1", 1);
        day("^wait", 1);
        day("^rooms", 1);
        day("hour ; ^;", 1);
    }

    private static void tooMany() {
        StringBuilder doors = new StringBuilder("rooms 2 ;");
        for (int i = 0; i < 14; i++) {
            doors.append("door d").append((char) ('a' + i)).append(" 0 to 1 plain;");
        }
        quarter(doors.toString(), 0);
        quarter(doors + "^door dz 0 to 1 plain;", 5);
        quarter(doors + "person z cat at 0 errand 0 by 1;", 0);
        StringBuilder people = new StringBuilder("rooms 2 ;");
        for (int i = 0; i < 6; i++) {
            people.append("person p").append((char) ('a' + i)).append(" cat at 0 errand 0 by 1;");
        }
        quarter(people.toString(), 0);
        quarter(people + "^person", 5);
        quarter(people + "door z 0 to 1 plain;", 0);
        String lines = "hour;".repeat(24);
        day(lines, 0);
        day(lines + "^hour;", 5);
        day(lines + "^go;", 5);
        day(lines + "^wait;", 1);
    }
}
