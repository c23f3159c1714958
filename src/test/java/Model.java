import java.util.ArrayList;
import java.util.List;

/** The document's tick, written a second time and in another way, to hold the class's answers against. */
final class Model {
    record Bead(int kind, int rest, int stiff, int mass, int at, int speed) {
        Bead with(int what, int v) {
            return new Bead(what == 0 ? v : kind, what == 1 ? v : rest, what == 2 ? v : stiff,
                    what == 3 ? v : mass, what == 4 ? v : at, what == 5 ? v : speed);
        }
    }

    record Knock(int bead, int by) {
    }

    List<Bead> beads = new ArrayList<>();
    List<Knock> knocks = new ArrayList<>();
    int drag;
    int tick;
    int gone = 0;
    int stops = 0;

    static Model of(SpringBeads x) {
        Model m = new Model();
        for (int b = 0; b < x.rule(0); b++) {
            m.beads.add(new Bead(x.bead(b, 0), x.bead(b, 1), x.bead(b, 2), x.bead(b, 3), x.bead(b, 4),
                    x.bead(b, 5) - 100));
        }
        for (int i = 0; i < x.rule(1); i++) {
            m.knocks.add(new Knock(x.knock(i, 0), x.knock(i, 1) - 9));
        }
        m.tick = x.rule(2);
        m.drag = x.rule(3);
        return m;
    }

    Model copy() {
        Model m = new Model();
        m.beads = new ArrayList<>(beads);
        m.knocks = new ArrayList<>(knocks);
        m.drag = drag;
        m.tick = tick;
        return m;
    }

    Model altered(int b, int what, int v) {
        Model m = copy();
        m.beads.set(b, beads.get(b).with(what, v));
        return m;
    }

    int last() {
        return beads.isEmpty() ? 0 : beads.get(beads.size() - 1).at();
    }

    private double pull(int b) {
        if (b == beads.size()) {
            return 0;
        }
        Bead bead = beads.get(b);
        double stretch = bead.at() - (b == 0 ? 0 : beads.get(b - 1).at()) - bead.rest();
        double plain = bead.stiff() * stretch;
        return switch (bead.kind()) {
            case 0 -> plain;
            case 1 -> Math.max(plain, 0);
            case 2 -> Math.min(plain, 0);
            default -> Math.abs(stretch) <= 5 ? 0 : plain;
        };
    }

    private static int bounded(int v, int least, int most) {
        return v < least ? least : v > most ? most : v;
    }

    void knock(Knock k) {
        if (k != null && k.bead() < beads.size()) {
            Bead hit = beads.get(k.bead());
            beads.set(k.bead(), hit.with(5, bounded(hit.speed() + k.by(), -40, 40)));
        }
    }

    Knock planned() {
        return knocks.isEmpty() ? null : knocks.get(tick % knocks.size());
    }

    Model tick() {
        return tick(planned());
    }

    Model tick(Knock k) {
        knock(k);
        List<Bead> then = new ArrayList<>();
        for (int b = 0; b < beads.size(); b++) {
            Bead bead = beads.get(b);
            double push = (pull(b + 1) - pull(b)) / (10.0 * bead.mass());
            int speed = bead.speed() + (int) push;
            for (int i = 0; i < drag; i++) {
                speed -= Integer.signum(speed);
            }
            speed = bounded(speed, -40, 40);
            int at = bead.at() + speed;
            if (at < 0 || at > 300) {
                at = bounded(at, 0, 300);
                speed = 0;
                stops++;
            }
            gone += Math.abs(at - bead.at());
            then.add(bead.with(4, at).with(5, speed));
        }
        beads = then;
        tick++;
        return this;
    }

    Model ticks(int n) {
        for (int i = 0; i < n; i++) {
            tick();
        }
        return this;
    }

    /** The greatest swing in n ticks. */
    int swing(int n) {
        Model m = copy();
        int greatest = 0;
        for (int i = 0; i < n; i++) {
            greatest = Math.max(greatest, Math.abs(m.tick().last() - last()));
        }
        return greatest;
    }
}
