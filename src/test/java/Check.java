/** Compares what a call answers with what is due, and counts what differs. */
final class Check {
    private int wrong = 0;
    private String context = "";

    /** What follows tests these words of the document; a report names them. */
    void sentence(String promise, String words) {
        context = promise + ", \"" + words + "\": ";
    }

    void due(String call, long got, long want) {
        if (got != want) {
            report(call + " answered " + got + ", due is " + want);
        }
    }

    void due(String call, boolean got, boolean want) {
        due(call, got ? 1 : 0, want ? 1 : 0);
    }

    void dueDouble(String call, double got, double want) {
        if (got != want) {
            report(call + " answered " + got + ", due is " + want);
        }
    }

    /** The class must be the very one: a kind of it from the machine would not do. */
    void dueThrow(String call, Class<? extends RuntimeException> want, Runnable run) {
        try {
            run.run();
        } catch (RuntimeException e) {
            if (e.getClass() != want) {
                report(call + " threw " + e.getClass() + ", due is " + want);
            }
            return;
        }
        report(call + " threw nothing, due is " + want);
    }

    /** As dueThrow, and the object must be as it was before the call. */
    void dueThrowWithoutChange(String call, Class<? extends RuntimeException> want, PloughPlanner x, Runnable run) {
        long before = x.digest();
        dueThrow(call, want, run);
        due("digest() after " + call, x.digest(), before);
    }

    private void report(String text) {
        wrong++;
        if (wrong <= 50) {
            System.out.println(context + text);
        }
    }

    void end() {
        if (wrong != 0) {
            System.out.println(wrong + " answers are not as due");
            System.exit(1);
        }
    }
}
