import java.util.List;

/** Sentences of the document's terms (1) that name a bound: the tape, tokens, quarters, days, faults. */
public final class BoundsOfTextsTest {
    private static final Sentences DOC = new Sentences("BoundsOfTextsTest");
    private static final int NONE = OneSided.NONE;
    private static final String TOLD = "rooms 3 ; door dd 0 to 1 plain ; person pp child at 0 errand 1 by 9 ; ";
    private static final String KEPT = "rooms door to open for holds price person at errand by let go hour plain "
        + "turning hinge blank tenant soldier child cat not and or";

    public static void main(String[] args) {
        tapeLength();
        tapeSigns();
        tapeTaken();
        tokens();
        words();
        numbers();
        signs();
        roomsLine();
        doorCount();
        doorRooms();
        doorWords();
        doorHours();
        doorRest();
        personLine();
        letOnce();
        dayLines();
        names();
        lawOrder();
        lawNesting();
        lawValues();
        faultPlaces();
        faultFirst();
        faultLeast();
        faultKinds();
        newQuarter();
        oneBehindAnother();
        atFirst();
        DOC.end();
    }

    private static void line(String marked, int kind) {
        DOC.quarter(TOLD + marked, kind);
    }

    private static void day(String marked, int kind) {
        DOC.day(TOLD, marked, kind);
    }

    private static String blanks(int many) {
        return " ".repeat(many);
    }

    private static void tapeLength() {
        DOC.says("The TAPE has at most 1,000 signs");
        OneSided x = new OneSided();
        DOC.is("empty", x.count(9), 0);
        DOC.is("999", Due.feed(x, "rooms 7" + blanks(992)), 999);
        DOC.is("1000", Due.feed(x, ";"), 1000);
        DOC.is("not 1001", Due.feed(x, "x"), 1000);
        DOC.is("not 1024", x.feed(-1, 0x7878787878787878L, 0x7878787878787878L), 1000);
        DOC.is("the first 1000 are read", x.quarter(), 0);
        DOC.is("7 rooms", x.count(0), 7);
        DOC.is("it has 1000 again", Due.feed(x, "rooms 8" + blanks(993)), 1000);
        Due.feed(x, ";");
        DOC.is("the sign behind is left out", x.quarter(), 1 + 16 * 1000);
        DOC.is("still 7 rooms", x.count(0), 7);
        Due.feed(x, "rooms 9" + blanks(990));
        DOC.is("997, then 3 of 24", Due.feed(x, "  ;" + "x".repeat(21)), 1000);
        DOC.is("no x is read", x.quarter(), 0);
        Due.feed(x, "hour" + blanks(996));
        DOC.is("a day as well", x.day(), 1 + 16 * 1000);
    }

    private static void tapeSigns() {
        DOC.says("signs, 10 and 32 .. 126");
        for (int sign = 0; sign < 256; sign++) {
            boolean kept = sign == 10 || sign >= 32 && sign <= 126;
            OneSided x = new OneSided();
            DOC.is("sign " + sign + " last", x.feed(sign, 0, 0), kept ? 1 : 0);
            DOC.is("sign " + sign + " first", x.feed(0, 0, (long) sign << 56), kept ? 2 : 0);
            DOC.is("sign " + sign + " between", x.feed(0, (long) sign << 32, 0), kept ? 3 : 0);
        }
    }

    private static void tapeTaken() {
        DOC.says("what reads it takes it: it is empty then.");
        OneSided x = new OneSided();
        String[] texts = {"rooms 3;", "rooms 1;", "hour;", "hours;", ""};
        for (String text : texts) {
            Due.feed(x, text);
            x.quarter();
            DOC.is("by quarter of " + text, x.count(9), 0);
            Due.feed(x, text);
            x.day();
            DOC.is("by day of " + text, x.count(9), 0);
        }
        Due.feed(x, "hour;");
        x.undo();
        x.mark(0, false);
        x.mark(0, true);
        x.hours(1);
        x.run(0);
        DOC.is("by nothing else", x.count(9), 5);
        DOC.is("what comes then comes to its beginning", Due.quarter(new OneSided(), "rooms 3;"), 0);
    }

    private static void tokens() {
        DOC.says("TOKENS, each as long as can be, blanks (10, 32) between where one likes");
        DOC.quarter("rooms3;door a0to 1plain;person b cat at0errand1by2;let(time)<9;", 0);
        DOC.quarter("\n rooms \n 3 \n ; \n\n door \n a 0 to\n1 plain ; ", 0);
        DOC.quarter("rooms3^to;", 1);
        DOC.quarter("rooms 3;^doora 0 to 1 plain;", 1);
        DOC.quarter("rooms 3 ^4;", 1);
        DOC.quarter("rooms ^34;", 4);
        DOC.quarter("^ro oms 3;", 1);
        DOC.quarter("rooms ^1 0;", 4);
        DOC.quarter("rooms 10;", 0);
        DOC.quarter("rooms 3;door a 0 ^too 1 plain;", 1);
        DOC.quarter("rooms 3;door a 0 to 1 ^plainopen 1 to 2;", 1);
    }

    private static void words() {
        DOC.says("WORDS (letters a .. z, 8 at most)");
        DOC.quarter("rooms 3;door a 0 to 1 plain;door z 1 to 0 plain;", 0);
        DOC.quarter("rooms 3;door abcdefgh 0 to 1 plain;", 0);
        DOC.quarter("rooms 3;door zzzzzzzz 0 to 1 plain;", 0);
        DOC.quarter("rooms 3;door ^abcdefghi 0 to 1 plain;", 1);
        DOC.quarter("rooms 3;door ^" + "q".repeat(900) + " 0 to 1;", 1);
        DOC.quarter("rooms 3;door a^` 0 to 1 plain;", 1);
        DOC.quarter("rooms 3;door a^{ 0 to 1 plain;", 1);
        DOC.quarter("rooms 3;door ^A 0 to 1 plain;", 1);
        DOC.quarter("rooms 3;door ^Z 0 to 1 plain;", 1);
        DOC.quarter("rooms 3;door abcdefgh 0 to 1 plain;door abcdefgi 0 to 1 plain;", 0);
        DOC.quarter("rooms 3;door abcdefgh 0 to 1 plain;door ^abcdefgh 0 to 1 plain;", 3);
        DOC.quarter("rooms 3;door abcdefgh 0 to 1 plain;door ^abcdefghh 0 to 1 plain;", 1);
        DOC.quarter("rooms 3;door a 0 to 1 plain;door aa 0 to 1 plain;door aaaaaaaa 0 to 1 plain;", 0);
        DOC.day(TOLD, "go pp ^ddddddddd;", 1);
        DOC.day(TOLD, "go pp ^dddddddd;", 2);
    }

    private static void numbers() {
        DOC.says("NUMBERS (1 to 4 digits; a letter may stand right behind)");
        DOC.quarter("rooms 9;", 0);
        DOC.quarter("rooms 0009;", 0);
        DOC.quarter("rooms ^00009;", 1);
        DOC.quarter("rooms ^" + "0".repeat(900) + "9;", 1);
        DOC.quarter("rooms ^18446744073709551625;", 1);
        DOC.quarter("rooms ^9999;", 4);
        DOC.quarter("rooms ^10000;", 1);
        DOC.quarter("rooms 3;let 9999;", 0);
        DOC.quarter("rooms 3;let ^99999;", 1);
        DOC.quarter("rooms 3;door a 0to 1plain open 1to 24for cat holds 1price 1;", 0);
        DOC.quarter("rooms 3;door a1to 0plain;", 0);
        DOC.quarter("rooms 3;let 1and 1or 0;", 0);
        DOC.quarter("rooms 3;let 1^a;", 1);
        OneSided x = DOC.made("rooms 3;door a 0 to 1 plain;let 9999 = 1111 * 9;");
        DOC.is("9999", x.leads(0, 0, 0, 0), 1);
    }

    private static void signs() {
        DOC.says("the signs ( ) < = + - * ;  All else (a longer WORD or NUMBER, too, at its first sign) is none.");
        line("let(1<2)=3+4-5*6;", 0);
        String tokens = "()<=+-*;";
        for (char sign = 33; sign < 127; sign++) {
            boolean known = tokens.indexOf(sign) >= 0 || sign >= '0' && sign <= '9' || sign >= 'a' && sign <= 'z';
            if (!known && sign != '^') {
                line("let 1 ^" + sign + " 1;", 1);
                line("^" + sign, 1);
                line("door ^" + sign + " 0 to 1 plain;", 1);
            }
        }
        OneSided x = new OneSided();
        DOC.is("94 is none", Due.quarter(x, "rooms 2;let 1^1;"), 1 + 16 * 13);
        line("door ^longernames 0 to 1 plain;", 1);
        line("let ^12345;", 1);
    }

    private static void roomsLine() {
        DOC.says("rooms N ;   first (2 to 10, numbers from 0)");
        for (int many = 0; many <= 13; many++) {
            boolean right = many >= 2 && many <= 10;
            DOC.quarter("rooms ^" + many + ";", right ? 0 : 4);
        }
        for (int many = 2; many <= 10; many++) {
            OneSided x = DOC.made("rooms " + many + ";");
            DOC.is("so many", x.count(0), many);
            DOC.is("the first is 0", x.ring(0, 0, 0), 1);
            DOC.is("the last", x.ring(many - 1, 0, 0), 1 << many - 1);
            DOC.is("none behind it", x.ring(many, 0, 0), NONE);
            DOC.is("none ahead of 0", x.ring(-1, 0, 0), NONE);
        }
        DOC.quarter("^", 1);
        DOC.quarter("  ^", 1);
        DOC.quarter("^door dd 0 to 1 plain;rooms 3;", 1);
        DOC.quarter("^person pp cat at 0 errand 0 by 1;rooms 3;", 1);
        DOC.quarter("^let 1;rooms 3;", 1);
        DOC.quarter("^;rooms 3;", 1);
        DOC.quarter("^3 rooms;", 1);
        DOC.quarter("^room 3;", 1);
        DOC.says("then any number of   door NAME");
        DOC.quarter("rooms 2;", 0);
        DOC.quarter("rooms 3;let 1;person pp child at 0 errand 1 by 9;door dd 0 to 1 plain;person qq cat at 2 errand 1 by 9;"
            + "door ee 1 to 2 blank;", 0);
    }

    private static String manyDoors(int many) {
        StringBuilder text = new StringBuilder("rooms 10;");
        for (int i = 0; i < many; i++) {
            text.append("door d").append((char) ('a' + i)).append(' ').append(i % 9).append(" to 9 plain price ");
            text.append(i % 10).append(';');
        }
        return text.toString();
    }

    private static void doorCount() {
        DOC.says("door: 14 at most, numbered as told");
        DOC.quarter(manyDoors(13), 0);
        DOC.quarter(manyDoors(14), 0);
        DOC.quarter(manyDoors(14) + "^door dz 0 to 1 plain;", 5);
        DOC.quarter(manyDoors(14) + "^door", 5);
        DOC.quarter(manyDoors(14) + "person pp cat at 0 errand 1 by 1;let 1;", 0);
        OneSided x = DOC.made(manyDoors(14));
        DOC.is("14", x.count(1), 14);
        for (int i = 0; i < 14; i++) {
            DOC.is("first room of " + i, x.door(i, 1), i % 9);
            DOC.is("price of " + i, x.door(i, 7), i % 10);
        }
        DOC.is("no 15th", x.door(14, 1), NONE);
        DOC.is("the last one leads", x.leads(13, 0, 4, 0), 9);
        DOC.is("none", DOC.made("rooms 2;").count(1), 0);
    }

    private static void doorRooms() {
        DOC.says("from a ROOM to another one");
        line("door ee 0 to 2 plain;", 0);
        line("door ee 2 to 0 plain;", 0);
        line("door ee ^3 to 0 plain;", 4);
        line("door ee 0 to ^3 plain;", 4);
        line("door ee ^9999 to 0 plain;", 4);
        line("door ee 0 to ^0 plain;", 3);
        line("door ee 2 to ^2 plain;", 3);
        line("door ee 2 to ^0002 plain;", 3);
        line("door ee 0 to 1 plain;", 0);
        DOC.quarter("rooms 2;door ee 0 to ^2 plain;", 4);
        DOC.quarter("rooms 10;door ee 9 to 0 plain;", 0);
        DOC.quarter("rooms 10;door ee ^10 to 0 plain;", 4);
    }

    private static void doorWords() {
        DOC.says("KIND: plain, turning, hinge, blank");
        String[] kinds = {"plain", "turning", "hinge", "blank"};
        for (int i = 0; i < kinds.length; i++) {
            DOC.is(kinds[i], DOC.made("rooms 2;door ee 0 to 1 " + kinds[i] + ";").door(0, 0), i);
        }
        for (String other : "plai plains tenant cat open ; 0 dd ee rooms".split(" ")) {
            line("door ee 0 to 1 ^" + other + ";", 1);
        }
        line("door ee 0 to 1 plain ^blank;", 1);
        DOC.says("in this order");
        String[] parts = {"open 1 to 2", "for cat", "holds 2", "price 3"};
        for (int i = 0; i < 4; i++) {
            for (int j = 0; j < 4; j++) {
                String marked = i < j ? parts[i] + " " + parts[j] : parts[i] + " ^" + parts[j];
                line("door ee 0 to 1 plain " + marked + ";", i < j ? 0 : 1);
            }
        }
        line("door ee 0 to 1 plain open 1 to 2 for cat holds 2 price 3;", 0);
        line("door ee 0 to 1 ^open 1 to 2 plain;", 1);
    }

    private static void doorHours() {
        DOC.says("OPEN is nothing or   open N to N   (hours 0 to 23, the second one 1 to 24 and above the first; 0 to 24 without)");
        OneSided x = DOC.made("rooms 2;door a 0 to 1 plain;door b 0 to 1 plain open 0 to 1;door c 0 to 1 plain open 23 to 24;");
        int[][] hours = {{0, 24}, {0, 1}, {23, 24}};
        for (int i = 0; i < 3; i++) {
            DOC.is("from", x.door(i, 3), hours[i][0]);
            DOC.is("ahead of", x.door(i, 4), hours[i][1]);
        }
        for (int from = 0; from <= 25; from++) {
            for (int to = 0; to <= 26; to++) {
                boolean first = from <= 23;
                boolean second = to > from && to <= 24;
                String marked = "open " + (first ? from + " to ^" + to : "^" + from + " to " + to);
                DOC.quarter("rooms 2;door a 0 to 1 plain " + marked + ";", first && second ? 0 : 4);
            }
        }
        line("door ee 0 to 1 plain open ^to 2;", 1);
        line("door ee 0 to 1 plain open 1 ^2;", 1);
        line("door ee 0 to 1 plain open 1 to ^;", 1);
    }

    private static void doorRest() {
        DOC.says("FOR nothing or   for SORT");
        String[] sorts = {"tenant", "soldier", "child", "cat"};
        for (int i = 0; i < sorts.length; i++) {
            DOC.is(sorts[i], DOC.made("rooms 2;door a 0 to 1 plain for " + sorts[i] + ";").door(0, 5), i);
        }
        DOC.is("nothing: all", DOC.made("rooms 2;door a 0 to 1 plain;").door(0, 5), NONE);
        line("door ee 0 to 1 plain for ^plain;", 1);
        line("door ee 0 to 1 plain for ^;", 1);
        line("door ee 0 to 1 plain for ^0;", 1);
        line("door ee 0 to 1 plain for cat ^child;", 1);
        DOC.says("HOLDS nothing or   holds N   (1 to 9; 1 without)");
        for (int many = 0; many <= 11; many++) {
            line("door ee 0 to 1 plain holds ^" + many + ";", many >= 1 && many <= 9 ? 0 : 4);
        }
        DOC.is("9", DOC.made("rooms 2;door a 0 to 1 plain holds 9;").door(0, 6), 9);
        DOC.is("1", DOC.made("rooms 2;door a 0 to 1 plain holds 1;").door(0, 6), 1);
        DOC.is("1 without", DOC.made("rooms 2;door a 0 to 1 plain;").door(0, 6), 1);
        DOC.says("PRICE nothing or   price N   (0 to 9; 0 without)");
        for (int price = 0; price <= 11; price++) {
            line("door ee 0 to 1 plain price ^" + price + ";", price <= 9 ? 0 : 4);
        }
        DOC.is("9", DOC.made("rooms 2;door a 0 to 1 plain price 9;").door(0, 7), 9);
        DOC.is("0", DOC.made("rooms 2;door a 0 to 1 plain price 0;").door(0, 7), 0);
        DOC.is("0 without", DOC.made("rooms 2;door a 0 to 1 plain;").door(0, 7), 0);
    }

    private static String manyPeople(int many) {
        StringBuilder text = new StringBuilder("rooms 6;");
        for (int i = 0; i < many; i++) {
            text.append("person p").append((char) ('a' + i)).append(" cat at ").append(i).append(" errand 0 by ");
            text.append(i + 1).append(';');
        }
        return text.toString();
    }

    private static void personLine() {
        DOC.says("person: 6 at most, numbered as told");
        DOC.quarter(manyPeople(5), 0);
        DOC.quarter(manyPeople(6), 0);
        DOC.quarter(manyPeople(6) + "^person pz cat at 0 errand 0 by 1;", 5);
        DOC.quarter(manyPeople(6) + "^person", 5);
        DOC.quarter(manyPeople(6) + "door dd 0 to 1 plain;let 1;", 0);
        OneSided x = DOC.made(manyPeople(6));
        DOC.is("6", x.count(2), 6);
        for (int i = 0; i < 6; i++) {
            DOC.is("home of " + i, x.person(i, 1), i);
            DOC.is("by of " + i, x.person(i, 3), i + 1);
        }
        DOC.is("no seventh", x.person(6, 1), NONE);
        DOC.says("SORT: tenant, soldier, child, cat; at: the HOME; errand: a ROOM; by: an hour 1 to 24.");
        String[] sorts = {"tenant", "soldier", "child", "cat"};
        for (int i = 0; i < sorts.length; i++) {
            DOC.is(sorts[i], DOC.made("rooms 2;person p " + sorts[i] + " at 0 errand 0 by 1;").person(0, 0), i);
        }
        line("person qq ^dog at 0 errand 0 by 1;", 1);
        line("person qq ^plain at 0 errand 0 by 1;", 1);
        line("person qq ^at 0 errand 0 by 1;", 1);
        line("person qq cat at 2 errand 2 by 1;", 0);
        line("person qq cat at ^3 errand 0 by 1;", 4);
        line("person qq cat at 0 errand ^3 by 1;", 4);
        for (int by = 0; by <= 26; by++) {
            line("person qq cat at 0 errand 0 by ^" + by + ";", by >= 1 && by <= 24 ? 0 : 4);
        }
        line("person qq cat at 0 errand 0 ^;", 1);
        line("person qq cat ^errand 0 at 0 by 1;", 1);
    }

    private static void letOnce() {
        DOC.says("let: once.");
        line("let 1;", 0);
        line("let 1;^let 1;", 3);
        line("let 0;^let 0;", 3);
        line("let 1;door ee 0 to 1 plain;^let", 3);
        line("let 1;^let", 3);
    }

    private static void dayLines() {
        DOC.says("DAY: any number of   go NAME NAME ;   (a PERSON, a DOOR)   hour ;   24 lines at most, of those told.");
        day("", 0);
        day(" \n ", 0);
        day("go pp dd;", 0);
        day("hour;", 0);
        day("hour;".repeat(23), 0);
        day("hour;".repeat(24), 0);
        day("go pp dd;".repeat(24), 0);
        day("hour;".repeat(24) + "^hour;", 5);
        day("go pp dd;".repeat(24) + "^go pp dd;", 5);
        day("hour;".repeat(24) + "^hour", 5);
        day("hour;".repeat(24) + "   \n", 0);
        day("go^;", 1);
        day("go pp^;", 1);
        day("go ^dd pp;", 2);
        day("go pp ^pp;", 2);
        day("hour ^hour;", 1);
        day("^hours;", 1);
        day("^door;", 1);
        OneSided x = DOC.made(TOLD);
        for (int many = 0; many <= 24; many += 8) {
            Due.day(x, "hour;".repeat(many));
            DOC.is("lines", x.count(6), many);
        }
        DOC.is("in a quarter without people", Due.day(new OneSided(), "go pp dd;"), 2 + 16 * 3);
        DOC.is("without a door", Due.day(DOC.made("rooms 2;person pp cat at 0 errand 0 by 1;"), "go pp dd;"), 2 + 16 * 6);
    }

    private static void names() {
        DOC.says("A NAME is another WORD than rooms, door, to, open, for, holds, price, person, at, errand, by, let, go, hour, the KINDS, the SORTS, not, and, or");
        for (String word : KEPT.split(" ")) {
            line("door ^" + word + " 0 to 1 plain;", 1);
            line("person ^" + word + " cat at 0 errand 0 by 1;", 1);
            day("go ^" + word + " dd;", 1);
            day("go pp ^" + word + ";", 1);
            String longer = word.length() < 8 ? word + "s" : word.substring(1);
            line("door " + longer + " 0 to 1 plain;", 0);
        }
        for (String word : "time sort cost room".split(" ")) {
            line("door " + word + " 0 to 1 plain;", 0);
            line("person " + word + " cat at 0 errand 0 by 1;let " + word + ";", 0);
        }
        line("door ^7 0 to 1 plain;", 1);
        line("door ^; 0 to 1 plain;", 1);
        line("person ^", 1);
        DOC.says("no two (DOORS, PEOPLE) are alike.");
        line("door ^dd 0 to 1 plain;", 3);
        line("door ^pp 0 to 1 plain;", 3);
        line("person ^pp cat at 0 errand 0 by 1;", 3);
        line("person ^dd cat at 0 errand 0 by 1;", 3);
        line("door d 0 to 1 plain;door ddd 0 to 1 plain;person p cat at 0 errand 0 by 1;", 0);
    }

    private static int law(String law) {
        return DOC.made("rooms 2;door a 0 to 1 plain price 3;let " + law + ";").leads(0, 2, 0, 5) == 1 ? 1 : 0;
    }

    private static void lawOrder() {
        DOC.says("E: TEST { and TEST or or TEST }, from the left");
        DOC.is("1 or 1 and 0", law("1 or 1 and 0"), 0);
        DOC.is("0 and 1 or 1", law("0 and 1 or 1"), 1);
        DOC.is("0 and 0 or 1 and 1", law("0 and 0 or 1 and 1"), 1);
        line("let ^and 1;", 1);
        line("let 1 and ^;", 1);
        line("let 1 or ^or 1;", 1);
        DOC.says("TEST: SUM, or SUM < SUM, or SUM = SUM");
        line("let 1 < 2;", 0);
        line("let 1 < 2 ^< 3;", 1);
        line("let 1 < 2 ^= 3;", 1);
        line("let 1 = 2 ^< 3;", 1);
        line("let 1 = 2 ^= 3;", 1);
        line("let 1 ^> 2;", 1);
        line("let 1 < ^= 2;", 1);
        line("let 1 < 2 and 2 < 3;", 0);
        DOC.is("sums first", law("1 + 1 < 1 + 2"), 1);
        DOC.says("SUM: PRODUCT { + or - PRODUCT }; PRODUCT: PART { * PART }");
        DOC.is("9 - 4 - 5", law("9 - 4 - 5"), 0);
        DOC.is("9 - 4 + 5 = 10", law("9 - 4 + 5 = 10"), 1);
        DOC.is("2 + 3 * 4 = 14", law("2 + 3 * 4 = 14"), 1);
        DOC.is("2 * 3 * 4 = 24", law("2 * 3 * 4 = 24"), 1);
        line("let ^- 1;", 1);
        line("let ^* 1;", 1);
        line("let 1 + ^+ 1;", 1);
        line("let 1 * ^- 1;", 1);
    }

    private static void lawNesting() {
        DOC.says("PART: a NUMBER, a fact, not PART, ( E ); no PART lies within 5 of not and ( ).");
        line("let (1);", 0);
        line("let (^);", 1);
        line("let (1^;", 1);
        line("let 1^);", 1);
        line("let not ^;", 1);
        line("let ^plain;", 1);
        line("let ^dd;", 1);
        line("let ^times;", 1);
        String[] openers = {"not ", "("};
        for (int which = 0; which < 32; which++) {
            StringBuilder opened = new StringBuilder("let ");
            StringBuilder closed = new StringBuilder();
            for (int depth = 0; depth < 4; depth++) {
                int opener = which >> depth & 1;
                opened.append(openers[opener]);
                closed.append(opener == 1 ? ")" : "");
            }
            line(opened + "1" + closed + ";", 0);
            line(opened + "1 * 2" + closed + " * (1) + not 1;", 0);
            opened.append(openers[which >> 4]);
            for (String part : List.of("1", "time", "not 1", "(1)")) {
                line(opened + "^" + part, 5);
            }
            for (String other : List.of(";", ")", "and", "+", "dd", "", "?", "12345")) {
                line(opened + "^" + other, 1);
            }
        }
        line("let ((((1 + 1) * 1) and 1) or 1) and ((((1))));", 0);
        line("let ((((1 + (^1", 5);
    }

    private static void lawValues() {
        DOC.says("Facts: time (the hour), sort (0 tenant, 1 soldier, 2 child, 3 cat), cost (the DOOR's price), room (into which it leads then).");
        for (int hour = 0; hour < 24; hour++) {
            OneSided x = DOC.made("rooms 2;door a 0 to 1 plain;let time = " + hour + ";");
            DOC.is("this hour", x.leads(0, 0, 0, hour), 1);
            DOC.is("the next one", x.leads(0, 0, 0, (hour + 1) % 24), NONE);
        }
        for (int sort = 0; sort < 4; sort++) {
            OneSided x = DOC.made("rooms 2;door a 0 to 1 plain;let sort = " + sort + ";");
            DOC.is("this sort", x.leads(0, sort, 0, 0), 1);
            DOC.is("another", x.leads(0, (sort + 1) % 4, 0, 0), NONE);
        }
        OneSided prices = DOC.made("rooms 2;door a 0 to 1 plain;door b 0 to 1 plain price 9;let cost = 9;");
        DOC.is("price 0", prices.leads(0, 0, 0, 0), NONE);
        DOC.is("price 9", prices.leads(1, 0, 0, 0), 1);
        OneSided rooms = DOC.made("rooms 3;door a 1 to 2 turning;let room = 1;");
        DOC.is("into 2 ahead of noon", rooms.leads(0, 0, 1, 11), NONE);
        DOC.is("into 1 from noon on", rooms.leads(0, 0, 2, 12), 1);
        DOC.says("Of not, and, or, < and = comes 1 or 0; what is not 0 is so");
        String[] ones = {"not 0 = 1", "not 7 = 0", "not not 7 = 1", "(5 and 7) = 1", "(5 and 0) = 0", "(0 or 9) = 1",
            "(0 or 0) = 0", "(1 < 2) = 1", "(2 < 2) = 0", "(3 < 2) = 0", "(2 = 2) = 1", "(2 = 3) = 0", "0 - 1", "7",
            "(0 - 3 and 0 - 2) = 1", "not (0 - 1) = 0"};
        for (String one : ones) {
            DOC.is(one, law(one), 1);
        }
        DOC.is("0", law("0"), 0);
        DOC.is("3 - 3", law("3 - 3"), 0);
        DOC.says("ints wrap.");
        String half = "(8192 * 8192 * 32)";
        String[] wraps = {half + " < 0", "0 < " + half + " - 1", half + " + " + half + " = 0", half + " * 2 = 0",
            half + " * 3 = " + half, "0 - " + half + " = " + half, half + " - 1 + 1 = " + half};
        for (String wrap : wraps) {
            DOC.is(wrap, law(wrap), 1);
        }
        DOC.is("1024 * 1024 * 4096", law("1024 * 1024 * 4096"), 0);
        DOC.says("Without let: 1.");
        OneSided x = DOC.made("rooms 2;door a 0 to 1 plain;");
        for (int i = 0; i < 96; i++) {
            DOC.is("each sort in each hour", x.leads(0, i % 4, 0, i / 4), 1);
        }
    }

    private static void faultPlaces() {
        DOC.says("FAULTS, kind + 16 * the place (from 0) of a token, the end being one at the text's length");
        DOC.quarter("^", 1);
        DOC.quarter("^x", 1);
        DOC.quarter(" \n^x", 1);
        DOC.quarter("rooms^", 1);
        DOC.quarter("rooms   \n ^", 1);
        DOC.quarter("rooms 2" + blanks(992) + "^x", 1);
        DOC.quarter("rooms 2" + blanks(993) + "^", 1);
        OneSided x = new OneSided();
        x.feed(0x00726f09ff6f6d7fL, 0x7300207800000000L, 0);
        DOC.is("left out signs have no place", x.quarter(), 1 + 16 * 6);
        day("go pp dd^", 1);
        day("go pp dd   ^", 1);
    }

    private static void faultFirst() {
        DOC.says("of the first token from the left that is wrong");
        DOC.quarter("rooms ^1; door ? 0 to 0 plain; rooms", 4);
        DOC.quarter("rooms 2; door ^? 0 to 0 plain; rooms", 1);
        DOC.quarter("rooms 2; door a 0 to ^0 plain; rooms", 3);
        DOC.quarter("rooms 2; door a 0 to 1 plain; ^rooms", 1);
        DOC.quarter("rooms 2; let 1; ^let ?", 3);
        day("go ^qq ee; wait", 2);
        day("go pp ^ee; wait", 2);
        day("go pp dd; ^wait", 1);
    }

    private static void faultLeast() {
        DOC.says("that is wrong the least");
        day("hour;".repeat(24) + "^wait;", 1);
        day("hour;".repeat(24) + "^;", 1);
        day("hour;".repeat(24) + "^?", 1);
        day("go ^door dd;", 1);
        line("let not not not not not ^and", 1);
        line("let not not not not not ^dd", 1);
        line("door ee ^99999 to 0 plain;", 1);
        line("door ee 0 to ^00000 plain;", 1);
        DOC.quarter(manyDoors(14) + "^doors", 1);
        DOC.quarter(manyPeople(6) + "^persons", 1);
    }

    private static void faultKinds() {
        DOC.says("1 it is none, or can't stand there (another line than rooms first, rooms again)");
        DOC.quarter("^let 1;", 1);
        DOC.quarter("rooms 2;^rooms 2;", 1);
        line("^rooms 3;", 1);
        line("^go pp dd;", 1);
        line("^hour;", 1);
        line("^;", 1);
        DOC.says("2 a NAME of no PERSON (behind go), of no DOOR (the second one)");
        day("go ^qq dd;", 2);
        day("go ^dd dd;", 2);
        day("go pp ^ee;", 2);
        day("go pp ^pp;", 2);
        day("go ^time dd;", 2);
        DOC.says("3 a NAME told already, the second ROOM of a door that is its first one, let a second time");
        line("door ^pp", 3);
        line("person ^dd", 3);
        line("door ee 1 to ^1", 3);
        line("let 1; ^let 1;", 3);
        DOC.says("4 a NUMBER that is not as told");
        line("door ee ^3", 4);
        line("door ee 0 to ^3", 4);
        line("door ee 0 to 1 plain open ^24", 4);
        line("door ee 0 to 1 plain open 4 to ^4", 4);
        line("door ee 0 to 1 plain holds ^0", 4);
        line("door ee 0 to 1 plain price ^10", 4);
        line("person qq cat at ^3", 4);
        line("person qq cat at 0 errand ^3", 4);
        line("person qq cat at 0 errand 0 by ^0", 4);
        DOC.says("5 one too many: the words door of a 15th, person of a seventh, the first word of a 25th line of a DAY; not, or a PART, within 5 others.");
        DOC.quarter(manyDoors(14) + "^door", 5);
        DOC.quarter(manyPeople(6) + "^person", 5);
        day("hour;".repeat(24) + "^go", 5);
        day("hour;".repeat(24) + "^hour", 5);
        line("let not not not not not ^not", 5);
        line("let not not not not not ^1", 5);
    }

    private static void newQuarter() {
        DOC.says("Without a FAULT a QUARTER is the QUARTER from then on: hour 0, all at HOME, none of their errands done, no DOOR shut, no DAY, nothing TOLD, nothing can be undone, no MARK is there.");
        OneSided x = DOC.made(TOLD);
        x.hours(3);
        x.go(0, 0);
        x.shut(0, true);
        x.told(0, 1, true);
        Due.day(x, "hour;");
        for (int mark = 0; mark < 4; mark++) {
            x.mark(mark, false);
        }
        DOC.is("anew", Due.quarter(x, TOLD), 0);
        int[] counts = {3, 1, 1, 0, 0, 0, 0, 0, 0, 0};
        for (int what = 0; what < 10; what++) {
            DOC.is("count " + what, x.count(what), counts[what]);
        }
        DOC.is("at home", x.person(0, 4), 0);
        DOC.is("not done", x.person(0, 5), 0);
        DOC.is("he hasn't gone in this hour", x.person(0, 6), 0);
        DOC.is("none went through", x.door(0, 9), 0);
        DOC.is("open", x.door(0, 8), 0);
        DOC.is("undo", x.undo(), false);
        for (int mark = 0; mark < 4; mark++) {
            DOC.is("mark " + mark, x.mark(mark, true), false);
        }
        DOC.says("A DAY is the DAY.");
        Due.day(x, "go pp dd;");
        DOC.is("it is judged", x.judged(0), 1);
        Due.day(x, "hour;hour;");
        DOC.is("another one", x.judged(0), 0);
        DOC.is("its lines", x.count(6), 2);
        Due.day(x, "");
        DOC.is("an empty one", x.count(6), 0);
    }

    /** Nothing of what was read ahead is seen, whether it had a fault or not. */
    private static void oneBehindAnother() {
        DOC.says("Without a FAULT a QUARTER is the QUARTER from then on");
        OneSided x = new OneSided();
        String[] texts = {manyDoors(3) + "let 0;", manyPeople(2), manyDoors(1), manyPeople(6) + "let 1;let", manyDoors(14) + "door",
            "rooms 2;", "rooms 2;let 1;", TOLD};
        int[][] counts = {{10, 3, 0}, {6, 0, 2}, {10, 1, 0}, {10, 1, 0}, {10, 1, 0}, {2, 0, 0}, {2, 0, 0}, {3, 1, 1}};
        int[] leads = {NONE, NONE, 9, 9, 9, NONE, NONE, 1};
        for (int i = 0; i < texts.length; i++) {
            Due.quarter(x, texts[i]);
            for (int what = 0; what < 3; what++) {
                DOC.is("count " + what + " behind text " + i, x.count(what), counts[i][what]);
            }
            DOC.is("a door leads behind text " + i, x.leads(0, 0, 0, 0), leads[i]);
            DOC.is("a walk is told behind text " + i, x.told(0, 1, true), true);
            DOC.is("by which door behind text " + i, x.found(1), leads[i] == 1 ? 1 : NONE);
        }
        OneSided y = DOC.made(TOLD);
        y.told(0, 1, true);
        Due.quarter(y, TOLD);
        y.told(0, 1, false);
        DOC.is("that one could not, now", y.found(2), 0);
    }

    private static void atFirst() {
        DOC.says("At first: rooms 2, nothing else.");
        OneSided x = new OneSided();
        for (int what = 0; what < 10; what++) {
            DOC.is("count " + what, x.count(what), what == 0 ? 2 : 0);
        }
        DOC.is("as rooms 2", Due.quarter(x, "rooms 2;"), 0);
        for (int what = 0; what < 10; what++) {
            DOC.is("told " + what, x.count(what), what == 0 ? 2 : 0);
        }
    }
}
