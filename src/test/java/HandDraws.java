/** DAYS DRAWN by hand: each draw as the document tells it, each thing done by the call for it. */
final class HandDraws {
    /** How often something was hoarded, bared, wasted, and somebody died, and how often that could not be. */
    final int[] done = new int[4];
    final int[] refused = new int[4];
    int nothingDrawn;
    int nobodyToDie;
    private int x;

    private int draw(int n) {
        x = x * 1103515245 + 12345;
        return (x >>> 8) % n;
    }

    private void count(int deed, int answer) {
        if (answer == 0) {
            done[deed]++;
        } else {
            refused[deed]++;
        }
    }

    private void drawDeed(LackFerry ferry) {
        int deed = draw(6);
        if (deed > 2) {
            nothingDrawn++;
            return;
        }
        int g = draw(ferry.count(0));
        int shore = draw(2);
        int n = draw(20) + 1;
        int answer = deed == 0 ? ferry.hoard(g, shore, n) : deed == 1 ? ferry.bare(g, shore, n) : ferry.waste(g, shore, n);
        count(deed, answer);
    }

    private void drawDeath(LackFerry ferry) {
        if (draw(90) != 0) {
            return;
        }
        if (ferry.count(1) == 0) {
            nobodyToDie++;
        } else {
            count(3, ferry.die(draw(ferry.count(1))));
        }
    }

    void pass(LackFerry ferry, int days, int seed) {
        x = seed;
        for (int k = 0; k < days && ferry.now(0) < 400; k++) {
            drawDeed(ferry);
            drawDeath(ferry);
            ferry.days(1);
        }
    }
}
