/** Boundary cases of 'Terms', ahead of its four parts: what is cut, fractions, refusals and their order, FINDINGS. */
public final class TermsEdgesTest {
    private static final int BAD = KiteTrays.BAD, STATE = KiteTrays.STATE, FULL = KiteTrays.FULL, NONE = KiteTrays.NONE;
    private static final Check check = new Check();
    private static final Twins twins = new Twins(check);

    public static void main(String[] args) {
        cut();
        fractions();
        sets();
        badAheadOfState();
        stateAheadOfBad();
        badAheadOfFull();
        badAheadOfFindings();
        findingsInTime();
        findingNumbers();
        noRoofIsRefused();
        check.end();
    }

    private static void cut() {
        check.told("All that is divided is cut towards 0");
        // Half of 21, of 1, of 81: with WEIGHT 1.
        check.due("pull", Scenes.sent("r1,99;w3;f7,1;", 40).get().pull(0), 9);
        check.due("pull", Scenes.sent("r1,99;w1;f1,1;", 40).get().pull(0), -1);
        check.due("pull", Scenes.sent("r1,99;w9;f9,1;", 40).get().pull(0), 39);
        // Half of 20 is not cut, half of 0 is 0.
        check.due("pull", Scenes.sent("r1,99;w4;f5,1;", 40).get().pull(0), 9);
        check.due("pull", Scenes.sent("r1,99;w0;f9,1;", 40).get().pull(0), -1);
    }

    private static void fraction(KiteTrays x, int n, int p, long above, long below) {
        check.due("calm(0, " + n + ", " + p + ", 0)", x.calm(0, n, p, 0), above);
        check.due("calm(0, " + n + ", " + p + ", 1)", x.calm(0, n, p, 1), below);
    }

    private static void fractions() {
        check.told("fractions, told as two numbers in lowest terms (0 is 0 by 1)");
        KiteTrays x = Scenes.sent("r8,12;w3;b5,7;", 20).get();
        fraction(x, 0, 0, 0, 1);
        fraction(x, 1, 10, 0, 1);
        fraction(x, 8, 10, 0, 1);
        fraction(x, 1, 0, 1, 1);
        fraction(x, 1, 5, 1, 2);
        fraction(x, 1, 8, 1, 5);
        fraction(x, 1, 3, 7, 10);
    }

    private static void sets() {
        check.told("Sets are bits");
        KiteTrays x = Scenes.sent("r1,99;w9;l0,1;l0,1;l0,1;l0,1;l0,1;l0,1;", 40, 40, 40, 40, 40, 40).get();
        check.due("all are UP", x.stand(0), 63);
        check.due("none is POLICY", x.stand(1), 0);
        check.due("all are POLICY", x.hours(1), 63);
        x = Scenes.read("r1,99;w9;l0,1;l0,1;l0,1;l0,1;l0,1;l0,1;").get();
        check.due("none is UP", x.stand(0), 0);
        check.due("the last alone", x.send(5, 1), 32);
        check.due("the first, too", x.send(0, 1), 33);
    }

    private static void badAheadOfState() {
        check.told("Refusals are answers, the first of these that fits, but as told: BAD (a number is not as told; there is no such thing), STATE (as told)");
        // PAPER 1 is in its TRAY, 2 has SNAPPED, 0 is UP.
        twins.refused("send of one UP, OUT 41", Scenes::busy, x -> x.send(0, 41), BAD);
        twins.refused("send of one UP, OUT 40", Scenes::busy, x -> x.send(0, 40), STATE);
        twins.refused("send of one SNAPPED, OUT 0", Scenes::busy, x -> x.send(2, 0), BAD);
        twins.refused("send of one SNAPPED, OUT 1", Scenes::busy, x -> x.send(2, 1), STATE);
        twins.refused("let of one in its TRAY by 0", Scenes::busy, x -> x.let(1, 0), BAD);
        twins.refused("let of one in its TRAY by 41", Scenes::busy, x -> x.let(1, 41), BAD);
        twins.refused("let of one in its TRAY by 40", Scenes::busy, x -> x.let(1, 40), STATE);
        twins.refused("let of one SNAPPED by -41", Scenes::busy, x -> x.let(2, -41), BAD);
        twins.refused("let of one SNAPPED by -40", Scenes::busy, x -> x.let(2, -40), STATE);
        twins.refused("lets of one in its TRAY, n 0", Scenes::busy, x -> x.lets(1, 0, 0), BAD);
        twins.refused("lets of one in its TRAY, n 5", Scenes::busy, x -> x.lets(1, 5, 0), BAD);
        twins.refused("lets of one in its TRAY, k -2", Scenes::busy, x -> x.lets(1, 4, -2), BAD);
        twins.refused("lets of one in its TRAY", Scenes::busy, x -> x.lets(1, 4, -1), STATE);
        twins.refused("image(2) without a ROOF", Scenes::none, x -> x.image(2), BAD);
        twins.refused("image(1) without a ROOF", Scenes::none, x -> x.image(1), STATE);
        twins.refused("restore(2), none was kept", Scenes::none, x -> x.restore(2), BAD);
        twins.refused("restore(1), none was kept", Scenes::none, x -> x.restore(1), STATE);
    }

    private static void stateAheadOfBad() {
        check.told("STATE: no ROOF (ahead of BAD)");
        for (int v : new int[] {Twins.LEAST, -1, 0, 1, 24, 25, 60, 61, Twins.MOST}) {
            twins.refused("hours(" + v + ")", Scenes::none, x -> x.hours(v), STATE);
            twins.refused("force(" + v + ")", Scenes::none, x -> x.force(v), STATE);
            twins.refused("stand(" + v + ")", Scenes::none, x -> x.stand(v), STATE);
            twins.refused("policy(" + v + ")", Scenes::none, x -> x.policy(v), STATE);
            twins.refused("quarrels(" + v + ")", Scenes::none, x -> x.quarrels(v), STATE);
            twins.refused("sends(" + v + ", 1, 0)", Scenes::none, x -> x.sends(v, 1, 0), STATE);
            twins.refused("sends(1, " + v + ", 0)", Scenes::none, x -> x.sends(1, v, 0), STATE);
            twins.refused("sends(1, 1, " + v + ")", Scenes::none, x -> x.sends(1, 1, v), STATE);
            twins.refused("drawn(" + v + ", 1, 0)", Scenes::none, x -> x.drawn(v, 1, 0), STATE);
            twins.refused("drawn(1, " + v + ", 0)", Scenes::none, x -> x.drawn(1, v, 0), STATE);
            twins.refused("drawn(1, 1, " + v + ")", Scenes::none, x -> x.drawn(1, 1, v), STATE);
        }
        // A text with a FAULT makes no ROOF.
        twins.refused("hours(0) behind a FAULT", () -> afterFault(), x -> x.hours(0), STATE);
        twins.refused("stand(0) behind a FAULT", () -> afterFault(), x -> x.stand(0), STATE);
    }

    private static KiteTrays afterFault() {
        KiteTrays x = new KiteTrays();
        Check.read(x, "r1,1;w1;b1,1;b1,0;");
        return x;
    }

    private static void badAheadOfFull() {
        check.told("FULL (as told)");
        twins.refused("hours(25) at HOUR 999", Scenes::lastHour, x -> x.hours(25), BAD);
        twins.refused("hours(0) at HOUR 999", Scenes::lastHour, x -> x.hours(0), BAD);
        twins.refused("hours(24) at HOUR 999", Scenes::lastHour, x -> x.hours(24), FULL);
        twins.refused("feed(256) of a full tape", Scenes::fullTape, x -> x.feed(256), BAD);
        twins.refused("feed(-1) of a full tape", Scenes::fullTape, x -> x.feed(-1), BAD);
        twins.refused("feed(255) of a full tape", Scenes::fullTape, x -> x.feed(255), FULL);
    }

    private static void badAheadOfFindings() {
        check.told("then FINDINGS");
        twins.refused("row(8, 0, -1)", Scenes::busy, x -> x.row(8, 0, -1), BAD);
        twins.refused("row(0, 3, -1)", Scenes::busy, x -> x.row(0, 3, -1), BAD);
        twins.refused("set(8, -1, 0)", Scenes::busy, x -> x.set(8, -1, 0), BAD);
        twins.refused("copy of 8, 4 is missing", Scenes::busy, x -> x.copy(8, 0, 4, 0, 1), BAD);
        twins.refused("copy to -1, 4 is missing", Scenes::busy, x -> x.copy(4, 0, -1, 0, 1), BAD);
        twins.refused("who, no such PAPER, a missing ROW", Scenes::busy, x -> x.who(6, 0, 4, 0, 1), BAD);
        twins.refused("who, no such one, a missing ROW", Scenes::busy, x -> x.who(0, 5, 4, 0, 1), BAD);
        twins.refused("who, n 13, a missing ROW", Scenes::busy, x -> x.who(0, 0, 4, 0, 13), BAD);
        twins.refused("who, n 0, no such place", Scenes::busy, x -> x.who(0, 0, 0, -1, 0), BAD);
        twins.refused("winds, no such WIND, a missing ROW", Scenes::busy, x -> x.winds(0, 4, 4, 0, 1), BAD);
        twins.refused("winds, n 13, no such place", Scenes::busy, x -> x.winds(0, 0, 0, 0, 13), BAD);
        twins.refused("tapes, no such one, a missing ROW", Scenes::busy, x -> x.tapes(0, 2, 4, 0, 1), BAD);
        twins.refused("tapes, n 0, no such place", Scenes::busy, x -> x.tapes(0, 0, 0, 9, 0), BAD);
        twins.refused("as(0, 6)", Scenes::busy, x -> x.as(0, 6), BAD);
        twins.refused("who without a ROOF", Scenes::rows, x -> x.who(0, 0, 4, 0, 1), BAD);
        twins.refused("winds without a ROOF", Scenes::rows, x -> x.winds(0, 0, 4, 0, 1), BAD);
        twins.refused("tapes without a ROOF", Scenes::rows, x -> x.tapes(0, 0, 4, 0, 1), BAD);
    }

    private static void findingsInTime() {
        check.told("of several the first in time");
        twins.found("set in a missing ROW, no such place", Scenes::busy, x -> x.set(4, -1, 0), Twins.MISSING);
        twins.found("copy from a missing ROW, no such place", Scenes::busy, x -> x.copy(4, -1, 0, 0, 1), Twins.MISSING);
        twins.found("copy to a missing ROW, no such place", Scenes::busy, x -> x.copy(0, -1, 4, 0, 1), Twins.MISSING);
        twins.found("copy of two LANES, no such place", Scenes::busy, x -> x.copy(0, 9, 1, 9, -1), Twins.STORE);
        twins.found("who, a missing ROW, no such place", Scenes::busy, x -> x.who(0, 0, 4, -1, 1), Twins.MISSING);
        twins.found("winds, a missing ROW, no such place", Scenes::busy, x -> x.winds(0, 0, 4, -1, 1), Twins.MISSING);
        twins.found("tapes, a missing ROW, no such place", Scenes::busy, x -> x.tapes(0, 0, 4, -1, 1), Twins.MISSING);
    }

    private static void findingNumbers() {
        check.told("-1000010 less 1 NULL (a ROW that is missing), 2 PLACE (no such place of a ROW), 3 KIND (a PAPER that is not that), 4 SIZE (fewer than none), 5 STORE (ROWS of two LANES)");
        KiteTrays x = Scenes.busy();
        check.due("NULL", x.drop(4), -1000011);
        check.due("status()", x.status(), 1);
        check.due("PLACE", x.set(0, 5, 0), -1000012);
        check.due("status()", x.status(), 2);
        check.due("KIND", x.as(0, 2), -1000013);
        check.due("status()", x.status(), 3);
        check.due("SIZE", x.row(0, 0, -1), -1000014);
        check.due("status()", x.status(), 4);
        check.due("STORE", x.copy(0, 0, 1, 0, 1), -1000015);
        check.due("status()", x.status(), 5);
    }

    private static void noRoofIsRefused() {
        check.told("there is no such thing");
        twins.refused("send", Scenes::rows, x -> x.send(0, 1), BAD);
        twins.refused("let", Scenes::rows, x -> x.let(0, 1), BAD);
        twins.refused("weigh", Scenes::rows, x -> x.weigh(0, 1), BAD);
        twins.refused("blow", Scenes::rows, x -> x.blow(0, 1), BAD);
        twins.refused("paper", Scenes::rows, x -> x.paper(0, 0), BAD);
        twins.refused("ahead", Scenes::rows, x -> x.ahead(0, 0, 0), BAD);
        twins.refused("when", Scenes::rows, x -> x.when(0, 1), BAD);
        twins.refused("pull", Scenes::rows, x -> x.pull(0), BAD);
        twins.refused("lets", Scenes::rows, x -> x.lets(0, 1, 0), BAD);
        twins.refused("light", Scenes::rows, x -> x.light(0, 1), BAD);
        twins.refused("gust", Scenes::rows, x -> x.gust(0), BAD);
        twins.refused("who", Scenes::rows, x -> x.who(0, 0, 0, 0, 1), BAD);
        twins.refused("winds", Scenes::rows, x -> x.winds(0, 0, 0, 0, 1), BAD);
        twins.refused("tapes", Scenes::rows, x -> x.tapes(0, 0, 0, 0, 1), BAD);
        twins.refused("calm", Scenes::rows, x -> x.calm(0, 0, 0, 0), BAD);
        twins.refused("kind", Scenes::rows, x -> x.kind(0), BAD);
        twins.refused("as", Scenes::rows, x -> x.as(0, 0), BAD);
        twins.refused("ask", Scenes::rows, x -> x.ask(0, 0), BAD);
        twins.refused("undo", Scenes::rows, x -> x.undo(), STATE);
        twins.looked("trace", Scenes::rows, x -> x.trace(0), NONE);
    }
}
