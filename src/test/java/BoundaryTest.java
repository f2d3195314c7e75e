import java.nio.file.Path;

/** Each sentence of the document that names a bound: just inside of it, just outside, and what a refusal leaves. */
public final class BoundaryTest {
    public static void main(String[] args) throws Exception {
        Bounds.read(Path.of("../shared/DOC.md"));
        WhatItIs.all();
        BoundsOfTexts.all();
        BoundsOfDays.all();
        BoundsOfSums.all();
        BoundsOfCalls.all();
        if (Bounds.report() != 0) {
            System.exit(1);
        }
    }
}
